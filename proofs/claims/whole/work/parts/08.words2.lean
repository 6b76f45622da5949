/-! words of System.arraycopy -/
theorem km_J7_150 : Cond.methodLink RJ7 150 arraycopyName ∈ hAll := h_in 369 (by decide +kernel) (by decide +kernel)
theorem kt_arraycopy : Cond.static arraycopyName ∈ hAll := h_in 370 (by decide +kernel) (by decide +kernel)
