theorem zd164_42 : ∀ e ∈ ze164_42, decode code e.1 = .ok (e.2.1, zlen e.2.1 e.2.2.1) := by decide +kernel
theorem zd164_43 : ∀ e ∈ ze164_43, decode code e.1 = .ok (e.2.1, zlen e.2.1 e.2.2.1) := by decide +kernel
theorem zd164_44 : ∀ e ∈ ze164_44, decode code e.1 = .ok (e.2.1, zlen e.2.1 e.2.2.1) := by decide +kernel
theorem zd164_45 : ∀ e ∈ ze164_45, decode code e.1 = .ok (e.2.1, zlen e.2.1 e.2.2.1) := by decide +kernel
theorem zd164_46 : ∀ e ∈ ze164_46, decode code e.1 = .ok (e.2.1, zlen e.2.1 e.2.2.1) := by decide +kernel
theorem zd164_47 : ∀ e ∈ ze164_47, decode code e.1 = .ok (e.2.1, zlen e.2.1 e.2.2.1) := by decide +kernel
