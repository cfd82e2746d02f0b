theorem zd164_6 : ∀ e ∈ ze164_6, decode code e.1 = .ok (e.2.1, zlen e.2.1 e.2.2.1) := by decide +kernel
theorem zd164_7 : ∀ e ∈ ze164_7, decode code e.1 = .ok (e.2.1, zlen e.2.1 e.2.2.1) := by decide +kernel
theorem zd164_8 : ∀ e ∈ ze164_8, decode code e.1 = .ok (e.2.1, zlen e.2.1 e.2.2.1) := by decide +kernel
theorem zd164_9 : ∀ e ∈ ze164_9, decode code e.1 = .ok (e.2.1, zlen e.2.1 e.2.2.1) := by decide +kernel
theorem zd164_10 : ∀ e ∈ ze164_10, decode code e.1 = .ok (e.2.1, zlen e.2.1 e.2.2.1) := by decide +kernel
theorem zd164_11 : ∀ e ∈ ze164_11, decode code e.1 = .ok (e.2.1, zlen e.2.1 e.2.2.1) := by decide +kernel
