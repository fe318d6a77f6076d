section ZSO2
variable {σ : CS} {m : CV} {s : Int → Int}
theorem zOut_or : ∀ a : Fin 1024, ∀ r : Fin 10, zOr (a.val : Int) (zP2 (r.val : Int)) = (if (a.val / 2 ^ r.val) % 2 = 1 then (a.val : Int) else (a.val : Int) + zP2 (r.val : Int)) := by decide +kernel
theorem zOut_and : ∀ a : Fin 1024, ∀ r : Fin 10, zAndG (a.val : Int) (-1 - zP2 (r.val : Int)) = (if (a.val / 2 ^ r.val) % 2 = 1 then (a.val : Int) - zP2 (r.val : Int) else (a.val : Int)) := by decide +kernel
theorem zOut_orB : ∀ a : Fin 1024, ∀ r : Fin 10, ∀ q : Fin 10, zOr (a.val : Int) (zP2 (r.val : Int)) / zP2 (q.val : Int) % 2 = (if q = r then 1 else (a.val : Int) / zP2 (q.val : Int) % 2) := by decide +kernel
theorem zOut_andB : ∀ a : Fin 1024, ∀ r : Fin 10, ∀ q : Fin 10, zAndG (a.val : Int) (-1 - zP2 (r.val : Int)) / zP2 (q.val : Int) % 2 = (if q = r then 0 else (a.val : Int) / zP2 (q.val : Int) % 2) := by decide +kernel
end ZSO2
