theorem zd164_30 : ∀ e ∈ ze164_30, decode code e.1 = .ok (e.2.1, zlen e.2.1 e.2.2.1) := by decide +kernel
theorem zd164_31 : ∀ e ∈ ze164_31, decode code e.1 = .ok (e.2.1, zlen e.2.1 e.2.2.1) := by decide +kernel
theorem zd164_32 : ∀ e ∈ ze164_32, decode code e.1 = .ok (e.2.1, zlen e.2.1 e.2.2.1) := by decide +kernel
theorem zd164_33 : ∀ e ∈ ze164_33, decode code e.1 = .ok (e.2.1, zlen e.2.1 e.2.2.1) := by decide +kernel
theorem zd164_34 : ∀ e ∈ ze164_34, decode code e.1 = .ok (e.2.1, zlen e.2.1 e.2.2.1) := by decide +kernel
theorem zd164_35 : ∀ e ∈ ze164_35, decode code e.1 = .ok (e.2.1, zlen e.2.1 e.2.2.1) := by decide +kernel
