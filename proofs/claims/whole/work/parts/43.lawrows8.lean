/-! the law: what its instructions are -/
theorem dd_L_law_1639 : decode Y_L_law.2.1 1639 = .ok (.iaload, 1) := by decide +kernel
theorem dd_L_law_1640 : decode Y_L_law.2.1 1640 = .ok (.aload_n 0, 1) := by decide +kernel
theorem dd_L_law_1641 : decode Y_L_law.2.1 1641 = .ok (.iload 4, 2) := by decide +kernel
theorem dd_L_law_1643 : decode Y_L_law.2.1 1643 = .ok (.iconst 2, 1) := by decide +kernel
theorem dd_L_law_1644 : decode Y_L_law.2.1 1644 = .ok (.iadd, 1) := by decide +kernel
theorem dd_L_law_1645 : decode Y_L_law.2.1 1645 = .ok (.iaload, 1) := by decide +kernel
theorem dd_L_law_1646 : decode Y_L_law.2.1 1646 = .ok (.invokevirtual 195, 3) := by decide +kernel
theorem dd_L_law_1649 : decode Y_L_law.2.1 1649 = .ok (.istore 6, 2) := by decide +kernel
theorem dd_L_law_1651 : decode Y_L_law.2.1 1651 = .ok (.aload_n 2, 1) := by decide +kernel
theorem dd_L_law_1652 : decode Y_L_law.2.1 1652 = .ok (.invokevirtual 117, 3) := by decide +kernel
theorem dd_L_law_1655 : decode Y_L_law.2.1 1655 = .ok (.iload 5, 2) := by decide +kernel
theorem dd_L_law_1657 : decode Y_L_law.2.1 1657 = .ok (.if_icmp .eq 5, 3) := by decide +kernel
theorem dd_L_law_1660 : decode Y_L_law.2.1 1660 = .ok (.iconst 0, 1) := by decide +kernel
theorem dd_L_law_1661 : decode Y_L_law.2.1 1661 = .ok (.ireturn, 1) := by decide +kernel
theorem dd_L_law_1662 : decode Y_L_law.2.1 1662 = .ok (.iload 5, 2) := by decide +kernel
theorem dd_L_law_1664 : decode Y_L_law.2.1 1664 = .ok (.ifCond .ne 15, 3) := by decide +kernel
theorem dd_L_law_1667 : decode Y_L_law.2.1 1667 = .ok (.aload_n 3, 1) := by decide +kernel
theorem dd_L_law_1668 : decode Y_L_law.2.1 1668 = .ok (.iconst 0, 1) := by decide +kernel
theorem dd_L_law_1669 : decode Y_L_law.2.1 1669 = .ok (.laload, 1) := by decide +kernel
theorem dd_L_law_1670 : decode Y_L_law.2.1 1670 = .ok (.iload 6, 2) := by decide +kernel
theorem dd_L_law_1672 : decode Y_L_law.2.1 1672 = .ok (.i2l, 1) := by decide +kernel
theorem dd_L_law_1673 : decode Y_L_law.2.1 1673 = .ok (.lcmp, 1) := by decide +kernel
theorem dd_L_law_1674 : decode Y_L_law.2.1 1674 = .ok (.ifCond .eq 5, 3) := by decide +kernel
theorem dd_L_law_1677 : decode Y_L_law.2.1 1677 = .ok (.iconst 0, 1) := by decide +kernel
theorem dd_L_law_1678 : decode Y_L_law.2.1 1678 = .ok (.ireturn, 1) := by decide +kernel
theorem dd_L_law_1679 : decode Y_L_law.2.1 1679 = .ok (.goto 582, 3) := by decide +kernel
theorem dd_L_law_1682 : decode Y_L_law.2.1 1682 = .ok (.aload_n 1, 1) := by decide +kernel
theorem dd_L_law_1683 : decode Y_L_law.2.1 1683 = .ok (.aload_n 0, 1) := by decide +kernel
theorem dd_L_law_1684 : decode Y_L_law.2.1 1684 = .ok (.iload 4, 2) := by decide +kernel
theorem dd_L_law_1686 : decode Y_L_law.2.1 1686 = .ok (.iconst 1, 1) := by decide +kernel
theorem dd_L_law_1687 : decode Y_L_law.2.1 1687 = .ok (.iadd, 1) := by decide +kernel
theorem dd_L_law_1688 : decode Y_L_law.2.1 1688 = .ok (.iaload, 1) := by decide +kernel
theorem dd_L_law_1689 : decode Y_L_law.2.1 1689 = .ok (.aload_n 0, 1) := by decide +kernel
theorem dd_L_law_1690 : decode Y_L_law.2.1 1690 = .ok (.iload 4, 2) := by decide +kernel
theorem dd_L_law_1692 : decode Y_L_law.2.1 1692 = .ok (.iconst 2, 1) := by decide +kernel
theorem dd_L_law_1693 : decode Y_L_law.2.1 1693 = .ok (.iadd, 1) := by decide +kernel
theorem dd_L_law_1694 : decode Y_L_law.2.1 1694 = .ok (.iaload, 1) := by decide +kernel
theorem dd_L_law_1695 : decode Y_L_law.2.1 1695 = .ok (.aload_n 3, 1) := by decide +kernel
theorem dd_L_law_1696 : decode Y_L_law.2.1 1696 = .ok (.invokestatic 196, 3) := by decide +kernel
theorem dd_L_law_1699 : decode Y_L_law.2.1 1699 = .ok (.istore 5, 2) := by decide +kernel
theorem dd_L_law_1701 : decode Y_L_law.2.1 1701 = .ok (.aload_n 2, 1) := by decide +kernel
theorem dd_L_law_1702 : decode Y_L_law.2.1 1702 = .ok (.aload_n 0, 1) := by decide +kernel
theorem dd_L_law_1703 : decode Y_L_law.2.1 1703 = .ok (.iload 4, 2) := by decide +kernel
theorem dd_L_law_1705 : decode Y_L_law.2.1 1705 = .ok (.iconst 1, 1) := by decide +kernel
theorem dd_L_law_1706 : decode Y_L_law.2.1 1706 = .ok (.iadd, 1) := by decide +kernel
theorem dd_L_law_1707 : decode Y_L_law.2.1 1707 = .ok (.iaload, 1) := by decide +kernel
theorem dd_L_law_1708 : decode Y_L_law.2.1 1708 = .ok (.aload_n 0, 1) := by decide +kernel
theorem dd_L_law_1709 : decode Y_L_law.2.1 1709 = .ok (.iload 4, 2) := by decide +kernel
theorem dd_L_law_1711 : decode Y_L_law.2.1 1711 = .ok (.iconst 2, 1) := by decide +kernel
theorem dd_L_law_1712 : decode Y_L_law.2.1 1712 = .ok (.iadd, 1) := by decide +kernel
theorem dd_L_law_1713 : decode Y_L_law.2.1 1713 = .ok (.iaload, 1) := by decide +kernel
theorem dd_L_law_1714 : decode Y_L_law.2.1 1714 = .ok (.invokevirtual 198, 3) := by decide +kernel
theorem dd_L_law_1717 : decode Y_L_law.2.1 1717 = .ok (.istore 6, 2) := by decide +kernel
theorem dd_L_law_1719 : decode Y_L_law.2.1 1719 = .ok (.aload_n 2, 1) := by decide +kernel
theorem dd_L_law_1720 : decode Y_L_law.2.1 1720 = .ok (.invokevirtual 117, 3) := by decide +kernel
theorem dd_L_law_1723 : decode Y_L_law.2.1 1723 = .ok (.iload 5, 2) := by decide +kernel
theorem dd_L_law_1725 : decode Y_L_law.2.1 1725 = .ok (.if_icmp .eq 5, 3) := by decide +kernel
theorem dd_L_law_1728 : decode Y_L_law.2.1 1728 = .ok (.iconst 0, 1) := by decide +kernel
theorem dd_L_law_1729 : decode Y_L_law.2.1 1729 = .ok (.ireturn, 1) := by decide +kernel
theorem dd_L_law_1730 : decode Y_L_law.2.1 1730 = .ok (.iload 5, 2) := by decide +kernel
theorem dd_L_law_1732 : decode Y_L_law.2.1 1732 = .ok (.ifCond .ne 15, 3) := by decide +kernel
theorem dd_L_law_1735 : decode Y_L_law.2.1 1735 = .ok (.aload_n 3, 1) := by decide +kernel
theorem dd_L_law_1736 : decode Y_L_law.2.1 1736 = .ok (.iconst 0, 1) := by decide +kernel
theorem dd_L_law_1737 : decode Y_L_law.2.1 1737 = .ok (.laload, 1) := by decide +kernel
theorem dd_L_law_1738 : decode Y_L_law.2.1 1738 = .ok (.iload 6, 2) := by decide +kernel
theorem dd_L_law_1740 : decode Y_L_law.2.1 1740 = .ok (.i2l, 1) := by decide +kernel
theorem dd_L_law_1741 : decode Y_L_law.2.1 1741 = .ok (.lcmp, 1) := by decide +kernel
theorem dd_L_law_1742 : decode Y_L_law.2.1 1742 = .ok (.ifCond .eq 5, 3) := by decide +kernel
theorem dd_L_law_1745 : decode Y_L_law.2.1 1745 = .ok (.iconst 0, 1) := by decide +kernel
theorem dd_L_law_1746 : decode Y_L_law.2.1 1746 = .ok (.ireturn, 1) := by decide +kernel
theorem dd_L_law_1747 : decode Y_L_law.2.1 1747 = .ok (.goto 514, 3) := by decide +kernel
theorem dd_L_law_1750 : decode Y_L_law.2.1 1750 = .ok (.aload_n 1, 1) := by decide +kernel
theorem dd_L_law_1751 : decode Y_L_law.2.1 1751 = .ok (.invokevirtual 199, 3) := by decide +kernel
theorem dd_L_law_1754 : decode Y_L_law.2.1 1754 = .ok (.aload_n 2, 1) := by decide +kernel
theorem dd_L_law_1755 : decode Y_L_law.2.1 1755 = .ok (.invokevirtual 202, 3) := by decide +kernel
theorem dd_L_law_1758 : decode Y_L_law.2.1 1758 = .ok (.goto 503, 3) := by decide +kernel
theorem dd_L_law_1761 : decode Y_L_law.2.1 1761 = .ok (.aload_n 1, 1) := by decide +kernel
theorem dd_L_law_1762 : decode Y_L_law.2.1 1762 = .ok (.aload_n 0, 1) := by decide +kernel
theorem dd_L_law_1763 : decode Y_L_law.2.1 1763 = .ok (.iload 4, 2) := by decide +kernel
theorem dd_L_law_1765 : decode Y_L_law.2.1 1765 = .ok (.iconst 1, 1) := by decide +kernel
theorem dd_L_law_1766 : decode Y_L_law.2.1 1766 = .ok (.iadd, 1) := by decide +kernel
theorem dd_L_law_1767 : decode Y_L_law.2.1 1767 = .ok (.iaload, 1) := by decide +kernel
theorem dd_L_law_1768 : decode Y_L_law.2.1 1768 = .ok (.aload_n 0, 1) := by decide +kernel
theorem dd_L_law_1769 : decode Y_L_law.2.1 1769 = .ok (.iload 4, 2) := by decide +kernel
theorem dd_L_law_1771 : decode Y_L_law.2.1 1771 = .ok (.iconst 2, 1) := by decide +kernel
theorem dd_L_law_1772 : decode Y_L_law.2.1 1772 = .ok (.iadd, 1) := by decide +kernel
theorem dd_L_law_1773 : decode Y_L_law.2.1 1773 = .ok (.iaload, 1) := by decide +kernel
theorem dd_L_law_1774 : decode Y_L_law.2.1 1774 = .ok (.aload_n 3, 1) := by decide +kernel
theorem dd_L_law_1775 : decode Y_L_law.2.1 1775 = .ok (.invokestatic 203, 3) := by decide +kernel
theorem dd_L_law_1778 : decode Y_L_law.2.1 1778 = .ok (.istore 5, 2) := by decide +kernel
theorem dd_L_law_1780 : decode Y_L_law.2.1 1780 = .ok (.aload_n 2, 1) := by decide +kernel
theorem dd_L_law_1781 : decode Y_L_law.2.1 1781 = .ok (.aload_n 0, 1) := by decide +kernel
theorem dd_L_law_1782 : decode Y_L_law.2.1 1782 = .ok (.iload 4, 2) := by decide +kernel
theorem dd_L_law_1784 : decode Y_L_law.2.1 1784 = .ok (.iconst 1, 1) := by decide +kernel
theorem dd_L_law_1785 : decode Y_L_law.2.1 1785 = .ok (.iadd, 1) := by decide +kernel
theorem dd_L_law_1786 : decode Y_L_law.2.1 1786 = .ok (.iaload, 1) := by decide +kernel
theorem dd_L_law_1787 : decode Y_L_law.2.1 1787 = .ok (.aload_n 0, 1) := by decide +kernel
theorem dd_L_law_1788 : decode Y_L_law.2.1 1788 = .ok (.iload 4, 2) := by decide +kernel
theorem dd_L_law_1790 : decode Y_L_law.2.1 1790 = .ok (.iconst 2, 1) := by decide +kernel
theorem dd_L_law_1791 : decode Y_L_law.2.1 1791 = .ok (.iadd, 1) := by decide +kernel
theorem dd_L_law_1792 : decode Y_L_law.2.1 1792 = .ok (.iaload, 1) := by decide +kernel
theorem dd_L_law_1793 : decode Y_L_law.2.1 1793 = .ok (.invokevirtual 205, 3) := by decide +kernel
theorem dd_L_law_1796 : decode Y_L_law.2.1 1796 = .ok (.istore 6, 2) := by decide +kernel
theorem dd_L_law_1798 : decode Y_L_law.2.1 1798 = .ok (.aload_n 2, 1) := by decide +kernel
theorem dd_L_law_1799 : decode Y_L_law.2.1 1799 = .ok (.invokevirtual 117, 3) := by decide +kernel
theorem dd_L_law_1802 : decode Y_L_law.2.1 1802 = .ok (.iload 5, 2) := by decide +kernel
theorem dd_L_law_1804 : decode Y_L_law.2.1 1804 = .ok (.if_icmp .eq 5, 3) := by decide +kernel
theorem dd_L_law_1807 : decode Y_L_law.2.1 1807 = .ok (.iconst 0, 1) := by decide +kernel
theorem dd_L_law_1808 : decode Y_L_law.2.1 1808 = .ok (.ireturn, 1) := by decide +kernel
theorem dd_L_law_1809 : decode Y_L_law.2.1 1809 = .ok (.iload 5, 2) := by decide +kernel
theorem dd_L_law_1811 : decode Y_L_law.2.1 1811 = .ok (.ifCond .ne 15, 3) := by decide +kernel
theorem dd_L_law_1814 : decode Y_L_law.2.1 1814 = .ok (.aload_n 3, 1) := by decide +kernel
theorem dd_L_law_1815 : decode Y_L_law.2.1 1815 = .ok (.iconst 0, 1) := by decide +kernel
theorem dd_L_law_1816 : decode Y_L_law.2.1 1816 = .ok (.laload, 1) := by decide +kernel
theorem dd_L_law_1817 : decode Y_L_law.2.1 1817 = .ok (.iload 6, 2) := by decide +kernel
theorem dd_L_law_1819 : decode Y_L_law.2.1 1819 = .ok (.i2l, 1) := by decide +kernel
theorem dd_L_law_1820 : decode Y_L_law.2.1 1820 = .ok (.lcmp, 1) := by decide +kernel
theorem dd_L_law_1821 : decode Y_L_law.2.1 1821 = .ok (.ifCond .eq 5, 3) := by decide +kernel
theorem dd_L_law_1824 : decode Y_L_law.2.1 1824 = .ok (.iconst 0, 1) := by decide +kernel
theorem dd_L_law_1825 : decode Y_L_law.2.1 1825 = .ok (.ireturn, 1) := by decide +kernel
