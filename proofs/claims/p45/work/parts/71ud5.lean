/-! The relation at the start, by program -/
theorem zQ0 {vs : List Value} : zQ (z_al ((19, vs) :: c_h0)) (z_al ((19, vs) :: c_h0)) := ⟨zR0, zFs0, zWd0, zSe0, zVe0, zPk0, zPh0, zHr0, zSt0, zSw0, zTo0, zQu0, zSs0, zPa0, zTy0, zJu0, zSn0, zSa0, zBa0, zRu0, zAw0, zLn0, zAr0, zRt0⟩
