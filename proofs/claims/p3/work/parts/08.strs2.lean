theorem am_cst (x : Nat) : am_in (.castable (am_xn x) (am_xn x)) := by
  match x with
  | 0 => exact am_inP 425 (by decide +kernel) rfl
  | 1 => exact am_inP 489 (by decide +kernel) rfl
  | 2 => exact am_inP 661 (by decide +kernel) rfl
  | x + 3 => show am_in (.castable "java/lang/IndexOutOfBoundsException" "java/lang/IndexOutOfBoundsException"); exact am_inP 1053 (by decide +kernel) rfl
