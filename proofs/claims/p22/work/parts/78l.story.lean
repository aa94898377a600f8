/-! what story answers -/
theorem AW.nil {w w1 : qW} (h : AW [] w w1) : w1 = w := funext (fun p => funext (fun j => h.2 p j (fun _ => rfl)))
