theorem ix_all : ix_All := by
  refine ⟨fun mi mm h => ix_allG mm (ix_mem_n h), fun mi mm h0 h => ?_⟩
  cases mi with
  | zero => exact absurd rfl h0
  | succ k =>
    have h3 : ix_n ix_ms.tail k = some mm := h
    exact ix_allW mm (ix_mem_n h3)
