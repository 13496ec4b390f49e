theorem op_13 : am_op13 RI := by sorry
