theorem dL_law_1728 : decode cL_law 1728 = .ok (.iconst 1, 1) := by decide +kernel
theorem dL_law_1729 : decode cL_law 1729 = .ok (.iadd, 1) := by decide +kernel
theorem dL_law_1730 : decode cL_law 1730 = .ok (.iaload, 1) := by decide +kernel
theorem dL_law_1731 : decode cL_law 1731 = .ok (.aload_n 0, 1) := by decide +kernel
theorem dL_law_1732 : decode cL_law 1732 = .ok (.iload_n 3, 1) := by decide +kernel
theorem dL_law_1733 : decode cL_law 1733 = .ok (.iconst 2, 1) := by decide +kernel
theorem dL_law_1734 : decode cL_law 1734 = .ok (.iadd, 1) := by decide +kernel
theorem dL_law_1735 : decode cL_law 1735 = .ok (.iaload, 1) := by decide +kernel
theorem dL_law_1736 : decode cL_law 1736 = .ok (.invokevirtual 193, 3) := by decide +kernel
theorem dL_law_1739 : decode cL_law 1739 = .ok (.if_icmp .eq 41, 3) := by decide +kernel
theorem dL_law_1742 : decode cL_law 1742 = .ok (.iconst 0, 1) := by decide +kernel
theorem dL_law_1743 : decode cL_law 1743 = .ok (.ireturn, 1) := by decide +kernel
theorem dL_law_1744 : decode cL_law 1744 = .ok (.aload_n 1, 1) := by decide +kernel
theorem dL_law_1745 : decode cL_law 1745 = .ok (.aload_n 0, 1) := by decide +kernel
theorem dL_law_1746 : decode cL_law 1746 = .ok (.iload_n 3, 1) := by decide +kernel
theorem dL_law_1747 : decode cL_law 1747 = .ok (.iconst 1, 1) := by decide +kernel
theorem dL_law_1748 : decode cL_law 1748 = .ok (.iadd, 1) := by decide +kernel
theorem dL_law_1749 : decode cL_law 1749 = .ok (.iaload, 1) := by decide +kernel
theorem dL_law_1750 : decode cL_law 1750 = .ok (.invokevirtual 194, 3) := by decide +kernel
theorem dL_law_1753 : decode cL_law 1753 = .ok (.aload_n 2, 1) := by decide +kernel
theorem dL_law_1754 : decode cL_law 1754 = .ok (.aload_n 0, 1) := by decide +kernel
theorem dL_law_1755 : decode cL_law 1755 = .ok (.iload_n 3, 1) := by decide +kernel
theorem dL_law_1756 : decode cL_law 1756 = .ok (.iconst 1, 1) := by decide +kernel
theorem dL_law_1757 : decode cL_law 1757 = .ok (.iadd, 1) := by decide +kernel
theorem dL_law_1758 : decode cL_law 1758 = .ok (.iaload, 1) := by decide +kernel
theorem dL_law_1759 : decode cL_law 1759 = .ok (.invokevirtual 197, 3) := by decide +kernel
theorem dL_law_1762 : decode cL_law 1762 = .ok (.if_icmp .eq 18, 3) := by decide +kernel
theorem dL_law_1765 : decode cL_law 1765 = .ok (.iconst 0, 1) := by decide +kernel
theorem dL_law_1766 : decode cL_law 1766 = .ok (.ireturn, 1) := by decide +kernel
theorem dL_law_1767 : decode cL_law 1767 = .ok (.aload_n 1, 1) := by decide +kernel
theorem dL_law_1768 : decode cL_law 1768 = .ok (.invokevirtual 198, 3) := by decide +kernel
theorem dL_law_1771 : decode cL_law 1771 = .ok (.aload_n 2, 1) := by decide +kernel
theorem dL_law_1772 : decode cL_law 1772 = .ok (.invokevirtual 201, 3) := by decide +kernel
theorem dL_law_1775 : decode cL_law 1775 = .ok (.if_icmp .eq 5, 3) := by decide +kernel
theorem dL_law_1778 : decode cL_law 1778 = .ok (.iconst 0, 1) := by decide +kernel
theorem dL_law_1779 : decode cL_law 1779 = .ok (.ireturn, 1) := by decide +kernel
theorem dL_law_1780 : decode cL_law 1780 = .ok (.iinc 3 6, 3) := by decide +kernel
theorem dL_law_1783 : decode cL_law 1783 = .ok (.goto (-1765), 3) := by decide +kernel
theorem dL_law_1786 : decode cL_law 1786 = .ok (.iconst 1, 1) := by decide +kernel
theorem dL_law_1787 : decode cL_law 1787 = .ok (.ireturn, 1) := by decide +kernel
